theorem zd164_72 : ∀ e ∈ ze164_72, decode code e.1 = .ok (e.2.1, zlen e.2.1 e.2.2.1) := by decide +kernel
theorem zd164_73 : ∀ e ∈ ze164_73, decode code e.1 = .ok (e.2.1, zlen e.2.1 e.2.2.1) := by decide +kernel
theorem zd164_74 : ∀ e ∈ ze164_74, decode code e.1 = .ok (e.2.1, zlen e.2.1 e.2.2.1) := by decide +kernel
theorem zd164_75 : ∀ e ∈ ze164_75, decode code e.1 = .ok (e.2.1, zlen e.2.1 e.2.2.1) := by decide +kernel
theorem zd164_76 : ∀ e ∈ ze164_76, decode code e.1 = .ok (e.2.1, zlen e.2.1 e.2.2.1) := by decide +kernel
theorem zd164_77 : ∀ e ∈ ze164_77, decode code e.1 = .ok (e.2.1, zlen e.2.1 e.2.2.1) := by decide +kernel
