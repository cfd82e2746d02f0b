/-! each method: its words by their places, its instructions by its bytes -/
def zokM (M : ZMI) : Prop := zEok zAl zmt M ∧ (M.2.2.2.2.1 ≤ 2 → zMok zAl M)
