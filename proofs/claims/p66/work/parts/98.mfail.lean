/-! ===== failing: the other side ===== -/
def opInsp (A : AS) : AS := sift fFail (Hl (opFIP (opFIP (opPrune A) 0) 1)) [] (opFIP (opFIP (opPrune A) 0) 1)
