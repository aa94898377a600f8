def tAN (k pc : Nat) : Option yA := none
def tFK (k pc : Nat) : Option Nat := none
def tCT (t : Nat) : List yC := []
theorem t_0 : yex zgf zga zra zbv zbb tCT tAN tFK 100000 [] 200 305 33 zls [(0, 0, 0)] zS1 zKL = true := by decide +kernel
theorem t_3 : yex zgf zga zra zbv zbb tCT tAN tFK 100000 [] 200 305 33 zls [(0, 0, 3)] zS1 zKL = true := by decide +kernel
theorem t_20 : yex zgf zga zra zbv zbb tCT tAN tFK 100000 [] 200 305 33 zls [(0, 0, 20)] zS1 zKL = true := by decide +kernel
theorem t_9 : yex zgf zga zra zbv zbb tCT tAN tFK 100000 [] 200 305 33 zls [(0, 0, 9)] zS1 zKL = true := by decide +kernel
