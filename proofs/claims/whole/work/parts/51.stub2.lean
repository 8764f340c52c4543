/-- what an image holds: planks; who is there, fog, at, home, light, carries, bearer; sights: how many, places, lights -/
abbrev Im_ : Type := (Nat → Int32) × Int32 × Int32 × (Nat → Int32) × (Nat → Int32) × (Nat → Int32) × (Nat → Int32) × (Nat → Int32) × Int32 × (Nat → Int32) × (Nat → Int32)
abbrev wl_im (G : gw_) (a0 a1 a2 a3 a4 a5 a6 a7 a8 a9 a10 a11 : Nat) (i : Im_) : va_W := [ob_ a0 5 [.ref a1, .ref a3, .ref a9], ob_ a1 2 [.ref a2], ia_ G a2 144 i.1, ob_ a3 0 [.int i.2.1, .int i.2.2.1, .ref a4, .ref a5, .ref a6, .ref a7, .ref a8], ia_ G a4 6 i.2.2.2.1, ia_ G a5 6 i.2.2.2.2.1, ia_ G a6 6 i.2.2.2.2.2.1, ia_ G a7 6 i.2.2.2.2.2.2.1, ia_ G a8 6 i.2.2.2.2.2.2.2.1, ob_ a9 6 [.int i.2.2.2.2.2.2.2.2.1, .ref a10, .ref a11], ia_ G a10 8 i.2.2.2.2.2.2.2.2.2.1, ia_ G a11 8 i.2.2.2.2.2.2.2.2.2.2]
/-- an image's cells: none, or a Scene's twelve -/
def im_ (G : gw_) (img : Option Nat) (i : Option Im_) (t : va_W) : Prop := (i = none ∧ img = none ∧ t = []) ∨ ∃ (c : Im_) (a0 a1 a2 a3 a4 a5 a6 a7 a8 a9 a10 a11 : Nat), i = some c ∧ img = some a0 ∧ t = wl_im G a0 a1 a2 a3 a4 a5 a6 a7 a8 a9 a10 a11 c
def KK (kept isKept : Nat → Int32) (i0 i1 : Option Im_) : Prop := kept = kept
