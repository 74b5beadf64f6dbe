/-! A cell of a heap. -/
abbrev am_is (H : am_H) (p : Nat) (c : am_C) : Prop := H[p]? = some c
