/-! THE MODEL'S CONTRACTS, 6: weights, draughts, the launch -/
def sm (g : Nat → Int32) : Nat → Int32
  | 0 => 0
  | n + 1 => sm g n + g n
def fTB (σ : MS) (j : Nat) : Int32 := if σ.2 9 j = 2 then σ.2 13 j else 0
def fTC (σ : MS) (c : Nat) : Int32 := σ.2 27 c + σ.2 28 c
def tnsN (σ : MS) (nb : Nat) : Int32 := sm (fTB σ) nb + sm (fTC σ) 36
def fMB (σ : MS) (j : Nat) : Int32 := if σ.2 9 j = 2 then σ.2 13 j * (σ.2 10 j + σ.2 11 j) else 0
def fMC (σ : MS) (c : Nat) : Int32 := (σ.2 27 c + σ.2 28 c) * 2 * nI (c % 12)
def momN (σ : MS) (nb : Nat) : Int32 := sm (fMB σ) nb + sm (fMC σ) 36
def cenN (σ : MS) (nb : Nat) : Int32 := if tnsN σ nb = 0 then 0 else 50 * momN σ nb / tnsN σ nb
def trmN (σ : MS) (nb : Nat) : Int32 := (cenN σ nb - 550) * tnsN σ nb / 1000
def draN (σ : MS) (nb : Nat) (u : Int32) : Int32 := tnsN σ nb / 2 + (if ¬ u = 0 then trmN σ nb else -trmN σ nb)
def greN (σ : MS) (nb : Nat) : Int32 := if draN σ nb 1 < draN σ nb 0 then draN σ nb 0 else draN σ nb 1
theorem nI_rem12 (k : Nat) (hk : k < 36) : nI k - nI k / 12 * 12 = nI (k % 12) := pk_rem (a := k) (d := 12) (by omega) (by decide) (by decide)
