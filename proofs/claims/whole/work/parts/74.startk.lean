/-! the start: what the kernel finds -/
def zs0 : zSt := (185, 0, zent [.retAddr 0] 4, [], zh0)
def zrk (r : Nat → Nat → Option Nat) : Bool := (List.range 197).all fun a => (decide (100 ≤ (zK a).1) && decide ((zK a).1 ≤ 102)) || (List.range (zK a).2).all fun j => decide (r a j = zRF false a j)
def zz (i : Nat → Nat → Int32) (a n : Nat) : Bool := (List.range n).all fun j => decide (i a j = 0)
def zik (i : Nat → Nat → Int32) : Bool := decide (i 3 0 = 2) && (decide (i 3 1 = 0) && (decide (i 3 5 = 0) && (decide (i 3 8 = 0) && (decide (i 19 3 = 0) && (decide (i 19 4 = 0) && (decide (i 19 5 = 0) && (decide (i 19 6 = 0) && (decide (i 24 1 = 0) && (decide (i 24 2 = 0) && (decide (i 79 2 = 0) && (decide (i 126 2 = 0) && (decide (i 67 6 = 0) && (decide (i 1 1 = 0) && (decide (i 175 0 = 2) && (decide (i 176 0 = 0) && (decide (i 180 0 = 0) && (decide (i 183 0 = 0) && (decide (i 173 26 = 0) && (decide (i 173 1 = 0) && (zz i 187 30 && (zz i 188 3 && (zz i 189 900 && (zz i 190 60 && (zz i 191 2 && zz i 192 6))))))))))))))))))))))))
def zlsk : List (Option Value) → Bool
  | [some (.retAddr a), some (.ref b), some (.ref c), some (.int v)] => decide (a = 0) && (decide (b = 0) && (decide (c = 173) && decide (v = 0)))
  | _ => false
def zck : Option (zRs ⊕ zSt) → Bool
  | some (.inr s) => decide (s.1 = 185) && (decide (s.2.1 = 18) && (zlsk s.2.2.1 && (s.2.2.2.1.isEmpty && (decide (s.2.2.2.2.1 = 197) && (zrk s.2.2.2.2.2.2.1 && (zik s.2.2.2.2.2.1 && decide (s.2.2.2.2.2.2.2 0 10 = s.2.2.2.2.2.2.2 173 31)))))))
  | _ => false
set_option maxRecDepth 100000 in
theorem zck_ok : zck (zrs 1000 zs0) = true := by decide +kernel
