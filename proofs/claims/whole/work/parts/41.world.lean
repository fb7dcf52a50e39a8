/-! The world of the class and of the reference: kinds 0..16 the class (0 HomeDirectory, 1 Network, 2 its slots, 3 Messages, 4 Home, 5..8 its arrays, 9 the cores, 10 Cores, 11..16 their arrays), 20 on the reference (20 + the number of its field) -/
abbrev hx_cl : List vw_C := [(R_Msg, F_Msg, 7), (R_Net, F_Net, 3), (R_Core, F_Core, 14), (R_Home, F_Home, 5), (R_HD, F_HD, 3), (R_Mod, F_Mod, 27)]
abbrev hx_ty (cI cZ cM cC : ClassId) : List (ClassId × FieldType) := [(cI, .int), (cZ, .boolean), (cM, .object R_Msg), (cC, .object R_Core)]
/-- how many cells of a kind there are -/
def hx_n (n k : Nat) : Nat := match k with
  | 3 => 32
  | 10 => n
  | 11 => n
  | 12 => n
  | 13 => n
  | 14 => n
  | 15 => n
  | 16 => n
  | 17 => 0
  | 18 => 0
  | 19 => 0
  | 21 => 0
  | 32 => 0
  | 37 => 0
  | 38 => 0
  | 39 => 0
  | k => if k < 47 then 1 else 0
abbrev hx_L (n : Nat) : Nat → Nat → Prop := fun k c => c < hx_n n k
def hx_ce (cI cZ cM cC : ClassId) (n : Nat) (ad : Nat → Nat → Nat) : hd_E := fun k c g => match k with
  | 0 => .inr (4, [.ref (ad 1 0), .ref (ad 4 0), .ref (ad 9 0)])
  | 1 => .inr (1, [.ref (ad 2 0), .int (g 1), .int (g 2)])
  | 2 => .inl (cM, 32, .inr (.inr (.inr (.inr (fun j => some (ad 3 (g j).toNatClampNeg))))))
  | 3 => .inr (0, [.int (g 0), .int (g 1), .int (g 2), .int (g 3), .int (g 4), .int (g 5), .int (g 6)])
  | 4 => .inr (3, [.ref (ad 1 0), .ref (ad 5 0), .ref (ad 6 0), .ref (ad 7 0), .ref (ad 8 0)])
  | 5 => .inl (cI, 4, .inl g)
  | 6 => .inl (cI, 4, .inl g)
  | 7 => .inl (cI, 4, .inl g)
  | 8 => .inl (cI, 4, .inl g)
  | 9 => .inl (cC, n, .inr (.inr (.inr (.inr (fun j => some (ad 10 j))))))
  | 10 => .inr (2, [.int (g 0), .int (g 1), .ref (ad 1 0), .ref (ad 11 c), .ref (ad 12 c), .int (g 5), .int (g 6), .int (g 7), .int (g 8), .ref (ad 13 c), .ref (ad 14 c), .ref (ad 15 c), .ref (ad 16 c), .int (g 13)])
  | 11 => .inl (cI, 16, .inl g)
  | 12 => .inl (cI, 16, .inl g)
  | 13 => .inl (cI, 4, .inl g)
  | 14 => .inl (cI, 4, .inl g)
  | 15 => .inl (cI, 4, .inl g)
  | 16 => .inl (cI, 4, .inl g)
  | 20 => .inr (5, [.int (g 0), .int (g 1), .ref (ad 22 0), .ref (ad 23 0), .ref (ad 24 0), .ref (ad 25 0), .ref (ad 26 0), .ref (ad 27 0), .ref (ad 28 0), .ref (ad 29 0), .ref (ad 30 0), .ref (ad 31 0), .int (g 12), .ref (ad 33 0), .ref (ad 34 0), .ref (ad 35 0), .ref (ad 36 0), .int (g 17), .int (g 18), .int (g 19), .ref (ad 40 0), .ref (ad 41 0), .ref (ad 42 0), .ref (ad 43 0), .ref (ad 44 0), .ref (ad 45 0), .ref (ad 46 0)])
  | 22 => .inl (cI, 4, .inl g)
  | 23 => .inl (cI, 64, .inl g)
  | 24 => .inl (cI, 64, .inl g)
  | 25 => .inl (cI, 4, .inl g)
  | 26 => .inl (cI, 4, .inl g)
  | 27 => .inl (cI, 4, .inl g)
  | 28 => .inl (cI, 16, .inl g)
  | 29 => .inl (cI, 16, .inl g)
  | 30 => .inl (cI, 16, .inl g)
  | 31 => .inl (cI, 16, .inl g)
  | 33 => .inl (cI, 4, .inl g)
  | 34 => .inl (cI, 4, .inl g)
  | 35 => .inl (cI, 4, .inl g)
  | 36 => .inl (cZ, 16, .inl g)
  | 40 => .inl (cI, 64, .inl g)
  | 41 => .inl (cI, 64, .inl g)
  | 42 => .inl (cI, 64, .inl g)
  | 43 => .inl (cI, 64, .inl g)
  | 44 => .inl (cI, 64, .inl g)
  | 45 => .inl (cI, 64, .inl g)
  | 46 => .inl (cI, 64, .inl g)
  | _ => .inr (0, [])
abbrev hx_B (D : va_G) (cI cZ cM cC : ClassId) (n : Nat) (ad : Nat → Nat → Nat) (v : hd_V) : State → Prop := hd_B D hx_cl (hx_ty cI cZ cM cC) (hx_L n) ad (hx_ce cI cZ cM cC n ad) v
abbrev hx_A (n : Nat) (ad : Nat → Nat → Nat) : Nat → Prop := hd_A (hx_L n) ad
