/-! THE WORLD: every cell of the class' object, of the second object and the law's row, by component (the number of its class among the printed names), group (0 the object, k + 1 the row of field k) and index -/
abbrev Cm : Type := Nat → Int32 → Int32 → Int32
abbrev Wm : Type := Nat → Cm
abbrev wAd : Type := Nat → Nat → Int32 → Nat
abbrev wTa : Type := Nat → ClassId
def fI (f : Int32 → Int32) (j x : Int32) : Int32 → Int32 := fun k => if k = j then x else f k
def u3 (m : Cm) (g : Nat) (i j x : Int32) : Cm := fun g2 i2 => if g2 = g ∧ i2 = i then fI (m g i) j x else m g2 i2
def uW (M : Wm) (c : Nat) (m : Cm) : Wm := fun c2 => if c2 = c then m else M c2
def wdCode (i : Int32) : Int32 := ([841, 14420, 10056, 9734, 9528, 3181, 9886, 240373, 375062, 10631, 1111, 423, 249, 12387497, 123, 8903, 14006, 3057, 394691, 12251, 144941, 47, 60114, 2050, 133554, 168984] : List Int32).getD i.toNatClampNeg 0
def wdForm (i : Int32) : Int32 := ([0, 0, 0, 0, 0, 0, 0, 0, 0, 1, 0, 0, 2, 0, 1, 3, 4, 5, 6, 6, 7, 2, 1, 1, 8, 8] : List Int32).getD i.toNatClampNeg 0
def wdOn (i : Int32) : Int32 := ([0, 0, 0, 0, 0, 0, 0, 0, 0, 0, 0, 0, 0, 1, 1, 1, 0, 0, 0, 0, 0, 0, 0, 0, 0, 0] : List Int32).getD i.toNatClampNeg 0
def wdSw (i : Int32) : Int32 := ([18, 19, 20, 21, 22, 23, 24, 25, 0, 1, 2, 3, 4, 5, 6, 7, 8, 9, 10, 11, 12, 13, 14, 15, 16, 17] : List Int32).getD i.toNatClampNeg 0
def stLen (i : Int32) : Nat := ([2, 1, 3, 3, 2, 3, 2, 3, 0] : List Nat).getD i.toNatClampNeg 0
def stByte (i : Int32) (j : Int32) : Int32 := (([[112, 112], [112], [112, 112, 112], [120, 112, 112], [120, 112], [120, 108, 112], [103, 112], [112, 103, 112], []] : List (List Int32)).getD i.toNatClampNeg []).getD j.toNatClampNeg 0
def TW : u_T := fun k => match k with
  | 0 => ("RationLisp$Word", "code", "I", true)
  | 1 => ("RationLisp$Word", "form", "Ljava/lang/String;", true)
  | 2 => ("RationLisp$Word", "goesOn", "Z", true)
  | _ => ("java/lang/Enum", "ordinal", "I", true)
def TSt : u_T := fun k => match k with
  | 0 => ("java/lang/String", "value", "[B", true)
  | _ => ("java/lang/String", "coder", "B", true)
abbrev wcl : List vw_C := [(RX1, TX1, 8), (RX2, TX2, 7), (RX3, TX3, 9), (RX4, TX4, 3), (RX5, TX5, 6), (RX6, TX6, 7), (RX7, TX7, 11), (RX8, TX8, 5), (RX9, TX9, 6), (RX11, TX11, 6)]
abbrev wtys (ta : wTa) : List (ClassId × FieldType) := [(ta 0, .int), (ta 1, .boolean), (ta 2, .array .int), (ta 3, .object "RationLisp$Order")]
def wc1 (ta : wTa) (ad : wAd) (g : Nat) (f : Int32 → Int32) : va_E := match g with
  | 0 => .inr (0, [.ref (ad 1 1 0), .ref (ad 1 2 0), .ref (ad 1 3 0), .ref (ad 1 4 0), .ref (ad 1 5 0), .ref (ad 1 6 0), .ref (ad 1 7 0), .int (f 7)])
  | 1 => .inl (ta 2, 5, .inr (.inr (.inr (.inr (fun j => some (ad 1 8 (nI j)))))))
  | 2 => .inl (ta 0, 8, .inl (fun j => f (nI j)))
  | 3 => .inl (ta 0, 3000, .inl (fun j => f (nI j)))
  | 4 => .inl (ta 0, 3000, .inl (fun j => f (nI j)))
  | 5 => .inl (ta 0, 3000, .inl (fun j => f (nI j)))
  | 6 => .inl (ta 0, 3000, .inl (fun j => f (nI j)))
  | 7 => .inl (ta 0, 3000, .inl (fun j => f (nI j)))
  | 8 => .inl (ta 0, 8, .inl (fun j => f (nI j)))
  | _ => .inl (ta 0, 0, .inl (fun _ => 0))
def wc2 (ta : wTa) (ad : wAd) (g : Nat) (f : Int32 → Int32) : va_E := match g with
  | 0 => .inr (1, [.ref (ad 2 1 0), .ref (ad 2 2 0), .int (f 2), .int (f 3), .ref (ad 2 5 0), .ref (ad 2 6 0), .int (f 6)])
  | 1 => .inl (ta 0, 90, .inl (fun j => f (nI j)))
  | 2 => .inl (ta 0, 90, .inl (fun j => f (nI j)))
  | 5 => .inl (ta 0, 8, .inl (fun j => f (nI j)))
  | 6 => .inl (ta 0, 8, .inl (fun j => f (nI j)))
  | _ => .inl (ta 0, 0, .inl (fun _ => 0))
def wc4 (ta : wTa) (ad : wAd) (g : Nat) (f : Int32 → Int32) : va_E := match g with
  | 0 => .inr (3, [.ref (ad 4 1 0), .int (f 1), .int (f 2)])
  | 1 => .inl (ta 3, 60, .inr (.inr (.inr (.inr (fun j => some (ad 4 4 (nI j)))))))
  | 4 => .inr (2, [.int (f 0), .int (f 1), .int (f 2), .int (f 3), .int (f 4), .int (f 5), .int (f 6), .int (f 7), .int (f 8)])
  | _ => .inl (ta 0, 0, .inl (fun _ => 0))
def wc5 (ta : wTa) (ad : wAd) (g : Nat) (f : Int32 → Int32) : va_E := match g with
  | 0 => .inr (4, [.ref (ad 5 1 0), .ref (ad 5 2 0), .ref (ad 5 3 0), .ref (ad 5 4 0), .ref (ad 5 5 0), .int (f 5)])
  | 1 => .inl (ta 0, 4, .inl (fun j => f (nI j)))
  | 2 => .inl (ta 0, 4, .inl (fun j => f (nI j)))
  | 3 => .inl (ta 1, 4, .inl (fun j => f (nI j)))
  | 4 => .inl (ta 2, 4, .inr (.inr (.inr (.inr (fun j => some (ad 5 7 (nI j)))))))
  | 5 => .inl (ta 2, 4, .inr (.inr (.inr (.inr (fun j => some (ad 5 8 (nI j)))))))
  | 7 => .inl (ta 0, 4, .inl (fun j => f (nI j)))
  | 8 => .inl (ta 0, 4, .inl (fun j => f (nI j)))
  | _ => .inl (ta 0, 0, .inl (fun _ => 0))
def wc6 (ta : wTa) (ad : wAd) (g : Nat) (f : Int32 → Int32) : va_E := match g with
  | 0 => .inr (5, [.ref (ad 9 0 0), .ref (ad 6 2 0), .int (f 2), .int (f 3), .int (f 4), .int (f 5), .int (f 6)])
  | 2 => .inl (ta 0, 21, .inl (fun j => f (nI j)))
  | _ => .inl (ta 0, 0, .inl (fun _ => 0))
def wc7 (ta : wTa) (ad : wAd) (g : Nat) (f : Int32 → Int32) : va_E := match g with
  | 0 => .inr (6, [.ref (ad 9 0 0), .ref (ad 8 0 0), .ref (ad 5 0 0), .ref (ad 1 0 0), .ref (ad 4 0 0), .ref (ad 2 0 0), .int (f 6), .int (f 7), .int (f 8), .int (f 9), .int (f 10)])
  | _ => .inl (ta 0, 0, .inl (fun _ => 0))
def wc8 (ta : wTa) (ad : wAd) (g : Nat) (f : Int32 → Int32) : va_E := match g with
  | 0 => .inr (7, [.ref (ad 8 1 0), .ref (ad 8 2 0), .ref (ad 8 3 0), .ref (ad 8 4 0), .ref (ad 6 0 0)])
  | 1 => .inl (ta 0, 960, .inl (fun j => f (nI j)))
  | 2 => .inl (ta 0, 8, .inl (fun j => f (nI j)))
  | 3 => .inl (ta 0, 8, .inl (fun j => f (nI j)))
  | 4 => .inl (ta 1, 8, .inl (fun j => f (nI j)))
  | _ => .inl (ta 0, 0, .inl (fun _ => 0))
def wc9 (ta : wTa) (ad : wAd) (g : Nat) (f : Int32 → Int32) : va_E := match g with
  | 0 => .inr (8, [.ref (ad 9 1 0), .ref (ad 9 2 0), .ref (ad 9 3 0), .ref (ad 9 4 0), .ref (ad 9 5 0), .ref (ad 9 6 0)])
  | 1 => .inl (ta 0, 968, .inl (fun j => f (nI j)))
  | 2 => .inl (ta 0, 968, .inl (fun j => f (nI j)))
  | 3 => .inl (ta 0, 968, .inl (fun j => f (nI j)))
  | 4 => .inl (ta 0, 968, .inl (fun j => f (nI j)))
  | 5 => .inl (ta 0, 968, .inl (fun j => f (nI j)))
  | 6 => .inl (ta 0, 968, .inl (fun j => f (nI j)))
  | _ => .inl (ta 0, 0, .inl (fun _ => 0))
def wc11 (ta : wTa) (ad : wAd) (g : Nat) (f : Int32 → Int32) : va_E := match g with
  | 0 => .inr (9, [.ref (ad 9 0 0), .ref (ad 8 0 0), .ref (ad 5 0 0), .ref (ad 1 0 0), .ref (ad 4 0 0), .ref (ad 7 0 0)])
  | _ => .inl (ta 0, 0, .inl (fun _ => 0))
def wc13 (ta : wTa) (ad : wAd) (g : Nat) (f : Int32 → Int32) : va_E := match g with
  | 0 => .inl (ta 0, 8, .inl (fun j => f (nI j)))
  | _ => .inl (ta 0, 0, .inl (fun _ => 0))
def wc10 (ta : wTa) (ad : wAd) (g : Nat) (i : Int32) : va_E := match g with
  | 0 => .inr (11, [.int (wdCode i), .ref (ad 10 1 (wdForm i)), .int (wdOn i), .int i])
  | 1 => .inr (12, [.ref (ad 10 4 i), .int 0])
  | 2 => .inl (ta 5, 26, .inr (.inr (.inr (.inr (fun j => some (ad 10 0 (nI j)))))))
  | 3 => .inl (ta 0, 26, .inl (fun j => wdSw (nI j)))
  | _ => .inl (ta 6, stLen i, .inl (fun j => stByte i (nI j)))
/-- the other object: its components, and the same world seen from it -/
def sw (c : Nat) : Nat := match c with
  | 1 => 21
  | 2 => 22
  | 4 => 24
  | 5 => 25
  | 6 => 26
  | 7 => 27
  | 8 => 28
  | 9 => 29
  | 11 => 31
  | 12 => 32
  | 21 => 1
  | 22 => 2
  | 24 => 4
  | 25 => 5
  | 26 => 6
  | 27 => 7
  | 28 => 8
  | 29 => 9
  | 31 => 11
  | 32 => 12
  | c => c
def adS (ad : wAd) : wAd := fun c => ad (sw c)
def swM (M : Wm) : Wm := fun c => M (sw c)
def wcell (ta : wTa) (ad : wAd) (c g : Nat) (i : Int32) (f : Int32 → Int32) : va_E := match c with
  | 1 => wc1 ta ad g f
  | 2 => wc2 ta ad g f
  | 4 => wc4 ta ad g f
  | 5 => wc5 ta ad g f
  | 6 => wc6 ta ad g f
  | 7 => wc7 ta ad g f
  | 8 => wc8 ta ad g f
  | 9 => wc9 ta ad g f
  | 10 => wc10 ta ad g i
  | 11 => wc11 ta ad g f
  | 13 => wc13 ta ad g f
  | 21 => wc1 ta (adS ad) g f
  | 22 => wc2 ta (adS ad) g f
  | 24 => wc4 ta (adS ad) g f
  | 25 => wc5 ta (adS ad) g f
  | 26 => wc6 ta (adS ad) g f
  | 27 => wc7 ta (adS ad) g f
  | 28 => wc8 ta (adS ad) g f
  | 29 => wc9 ta (adS ad) g f
  | 31 => wc11 ta (adS ad) g f
  | _ => wc13 ta ad g f
/-- how many cells a group has -/
def wcnt (c g : Nat) : Nat := match c with
  | 1 => if g = 8 then 5 else if (0 ≤ g ∧ g ≤ 7) then 1 else 0
  | 2 => if (0 ≤ g ∧ g ≤ 2) ∨ (5 ≤ g ∧ g ≤ 6) then 1 else 0
  | 4 => if g = 4 then 60 else if g = 0 ∨ g = 1 then 1 else 0
  | 5 => if g = 7 ∨ g = 8 then 4 else if (0 ≤ g ∧ g ≤ 5) then 1 else 0
  | 6 => if g = 0 ∨ g = 2 then 1 else 0
  | 7 => if g = 0 then 1 else 0
  | 8 => if (0 ≤ g ∧ g ≤ 4) then 1 else 0
  | 9 => if (0 ≤ g ∧ g ≤ 6) then 1 else 0
  | 10 => 0
  | 11 => if g = 0 then 1 else 0
  | 13 => if g = 0 then 1 else 0
  | 21 => if g = 8 then 5 else if (0 ≤ g ∧ g ≤ 7) then 1 else 0
  | 22 => if (0 ≤ g ∧ g ≤ 2) ∨ (5 ≤ g ∧ g ≤ 6) then 1 else 0
  | 24 => if g = 4 then 60 else if g = 0 ∨ g = 1 then 1 else 0
  | 25 => if g = 7 ∨ g = 8 then 4 else if (0 ≤ g ∧ g ≤ 5) then 1 else 0
  | 26 => if g = 0 ∨ g = 2 then 1 else 0
  | 27 => if g = 0 then 1 else 0
  | 28 => if (0 ≤ g ∧ g ≤ 4) then 1 else 0
  | 29 => if (0 ≤ g ∧ g ≤ 6) then 1 else 0
  | 31 => if g = 0 then 1 else 0
  | _ => 0
