def jj (k : Nat) (Q : mW → mO → Prop) : Int → mK := fun t L st w g => RT k t.toNat L st w g Q
theorem wp_c {k : Nat} {J : Int → mK} {Q : mW → mO → Prop} {q : PI} {l : List PI} {f : Int} : wpS k J Q (q :: l) f = stW k J Q q (wpS k J Q l f) := rfl
theorem wp_n {k : Nat} {J : Int → mK} {Q : mW → mO → Prop} {f : Int} : wpS k J Q [] f = J f := rfl
theorem jj_n {k : Nat} {Q : mW → mO → Prop} {t : Int} {L st : List Value} {w : mW} {g : mG} : jj k Q t L st w g = RT k t.toNat L st w g Q := rfl
